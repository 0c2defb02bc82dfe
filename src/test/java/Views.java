/**
 * All that a DuneRoad answers, asked in parts. Some parts change the object, and none may be used for more than 512
 * calls: so each part has an object of its own, made by the same start.
 */
final class Views {
    static final int PARTS = 10;

    private final DuneRoad road;
    private final StringBuilder told = new StringBuilder();

    private Views(DuneRoad road) {
        this.road = road;
    }

    static String[] of(Bounds.Start start) {
        String[] parts = new String[PARTS];
        for (int part = 0; part < PARTS; part++) {
            Views views = new Views(Bounds.road(start));
            views.ask(part);
            parts[part] = views.told.toString();
        }
        return parts;
    }

    private void ask(int part) {
        switch (part) {
            case 0 -> counts();
            case 1 -> trains();
            case 2 -> heights();
            case 3 -> remainders();
            case 4 -> voyages();
            case 5 -> finds();
            case 6 -> rules();
            case 7 -> undone();
            case 8 -> images();
            default -> tape();
        }
    }

    private void add(String call, long answer) {
        told.append(call).append(" = ").append(answer).append('\n');
    }

    private void shipsNow() {
        for (int ship = 0; ship < road.count(4); ship++) {
            for (int what : new int[] {0, 1, 4, 5}) {
                add("ship " + ship + " " + what, road.ship(ship, what));
            }
        }
    }

    private void counts() {
        for (int what = 0; what <= 17; what++) {
            add("count " + what, road.count(what));
        }
        for (int ship = 0; ship < 4; ship++) {
            for (int what = 0; what <= 5; what++) {
                add("ship " + ship + " " + what, road.ship(ship, what));
            }
        }
        for (int place = 0; place < 8; place++) {
            for (int what = 0; what <= 3; what++) {
                add("place " + place + " " + what, road.place(place, what));
            }
        }
        add("round", road.round());
        for (int what = 0; what <= 6; what++) {
            add("order " + what, road.order(what));
        }
    }

    private void trains() {
        for (int train = 0; train < 3; train++) {
            for (int what = 0; what <= 3; what++) {
                add("train " + train + " " + what, road.train(train, what));
                add("winds " + train + " " + what, road.winds(train, what));
            }
            for (int what = 100; what < 120; what++) {
                add("train " + train + " " + what, road.train(train, what));
            }
        }
        for (int n = 0; n <= 12; n++) {
            add("storms " + n, road.storms(n, 1, 0));
            add("storms " + n, road.storms(n, 1, 1));
        }
    }

    private void heights() {
        int now = road.count(6);
        for (int cell = 0; cell < 12; cell++) {
            for (int day : new int[] {now - 2, now - 1, now, now + 1, now + 2, now + 7, now + 29, now + 30, 0, 1, 5000, 9999, 99999}) {
                add("height " + cell + " " + day, road.height(cell, day));
            }
        }
    }

    private void remainders() {
        int now = road.count(6);
        for (int place = 0; place < 8; place++) {
            for (int day : new int[] {0, now, 9999}) {
                add("again " + place + " " + day, road.again(place, day));
            }
            add("share " + place, road.share(place, 0));
            add("share " + place, road.share(place, 1));
        }
        for (int cell = 0; cell < 12; cell++) {
            add("crest " + cell, road.crest(cell, 0));
            add("crest " + cell + " now", road.crest(cell, now));
        }
        for (int town = 0; town < 4; town++) {
            add("rent " + town, road.rent(town, 0, 400));
            add("rent " + town + " now", road.rent(town, now, 30));
        }
    }

    private void voyages() {
        int cells = road.count(0);
        for (int ship = 0; ship < road.count(4); ship++) {
            for (int cell : new int[] {0, 1, cells / 2, cells - 1}) {
                for (int what = 0; what <= 3; what++) {
                    add("voyage " + ship + " " + cell + " " + what, road.voyage(ship, cell, what));
                }
            }
        }
    }

    private void finds() {
        int from = Math.min(9990, road.count(6));
        for (int place = 0; place < 8; place++) {
            for (int what = 0; what <= 2; what++) {
                add("fences " + place + " " + what, road.fences(1 << place, from, from + 9, what));
            }
        }
        for (int mast = 0; mast <= 60; mast++) {
            add("wreck " + mast, road.wreck(mast));
        }
        for (int mast = 0; mast <= 60; mast += 4) {
            add("shows " + mast, road.shows(mast, from));
        }
        for (int cell = 0; cell < 12; cell++) {
            add("masts " + cell, road.masts(cell));
        }
    }

    private void rules() {
        for (int rule = 0; rule < road.count(5); rule++) {
            for (int what = 0; what <= 2; what++) {
                add("drawn " + rule + " " + what, road.drawn(rule, 3, 20, what));
            }
        }
        for (int rule = 0; rule < road.count(5); rule++) {
            add("run " + rule, road.run(rule, 1));
            shipsNow();
        }
    }

    private void undone() {
        int left = 0;
        for (int i = 0; i <= 20 && left >= 0; i++) {
            left = road.undo();
            add("undo", left);
            for (int what : new int[] {6, 7, 8}) {
                add("behind undo count " + what, road.count(what));
            }
            for (int ship = 0; ship < 4; ship++) {
                for (int what : new int[] {0, 1, 4}) {
                    add("behind undo ship " + ship + " " + what, road.ship(ship, what));
                }
            }
        }
    }

    private void images() {
        for (int k = 0; k < 4; k++) {
            add("back " + k, road.back(k));
            for (int what = 0; what <= 17; what++) {
                add("behind back count " + what, road.count(what));
            }
            shipsNow();
            for (int cell = 0; cell < 12; cell++) {
                add("behind back height " + cell, road.height(cell, road.count(6)));
            }
            add("behind back wreck", road.wreck(5));
            add("behind back winds", road.winds(0, 0));
            add("behind back order", road.order(0));
            add("behind back undo", road.undo());
            add("behind back and undo, count 7", road.count(7));
        }
    }

    private void tape() {
        add("sea", road.sea());
        for (int what = 0; what <= 17; what++) {
            add("behind sea count " + what, road.count(what));
        }
        for (int cell = 0; cell < 12; cell++) {
            add("behind sea height " + cell, road.height(cell, 0));
        }
        shipsNow();
        add("back", road.back(0));
    }
}

import java.util.ArrayList;
import java.util.List;

/**
 * What an object holds, as far as it is asked here, in parts: each is asked of a twin of its own, as an object has
 * 512 calls, and as some can be asked only by a change.
 */
final class Everything {
    static final int PARTS = 10;

    private final Run run;
    private final List<Integer> answers = new ArrayList<>();

    private Everything(Run run) {
        this.run = run;
    }

    static int[] answers(Run twin, int part) {
        Everything all = new Everything(twin);
        switch (part) {
            case 0: all.town(); break;
            case 1: all.orders(); break;
            case 2: all.riders(); break;
            case 3: all.texts(); break;
            case 4: all.spotsAndRefusals(); break;
            case 5: all.roomLeft(); break;
            case 6: all.sheets(); break;
            case 7: all.trips(); break;
            case 8: all.joins(); break;
            default: all.image(); break;
        }
        return all.answers.stream().mapToInt(Integer::intValue).toArray();
    }

    private void ask(String name, int... a) {
        answers.add(run.call(name, a));
    }

    private void town() {
        for (int what = 0; what <= 6; what++) {
            ask("count", what);
        }
        for (int a = 0; a < 16; a++) {
            for (int b = 0; b < 16; b++) {
                ask("way", a, b);
            }
        }
        for (int c = 0; c < 16; c++) {
            ask("crossing", c, 0, 0);
            ask("crossing", c, 1, 0);
        }
    }

    private void orders() {
        int orders = run.call("count", 2);
        for (int o = 0; o < orders; o++) {
            for (int what = 0; what <= 10; what++) {
                ask("orderOf", o, what);
            }
            for (int part = 0; part <= 2; part++) {
                ask("lacks", o, part);
            }
        }
    }

    private void riders() {
        int riders = run.call("count", 4);
        for (int r = 0; r < riders; r++) {
            for (int what = 0; what <= 7; what++) {
                ask("riderOf", r, what);
            }
            ask("least", r, 0);
            ask("least", r, 1);
            for (int what = 0; what <= 2; what++) {
                ask("doubles", r, what);
            }
        }
        for (int zone = 0; zone < 4; zone++) {
            for (int what = 0; what <= 3; what++) {
                ask("zone", zone, what);
            }
        }
        ask("starves", 0);
        ask("law", 0);
    }

    private void texts() {
        int texts = run.call("count", 5);
        for (int t = 0; t < texts; t++) {
            ask("says", t, 0, 0);
            for (int what = 0; what <= 4; what++) {
                ask("night", t, what);
            }
        }
        ask("offered", 0);
        ask("force", 0, -1);
        ask("force", 1, -1);
        ask("text");
        ask("says", texts, 0, 0);
    }

    private void spotsAndRefusals() {
        for (int spot = 0; spot < 10; spot++) {
            for (int kind = 0; kind < 7; kind++) {
                ask("as", spot, kind);
            }
        }
        int riders = run.call("count", 4);
        int orders = run.call("count", 2);
        for (int r = 0; r < riders; r++) {
            for (int o = 0; o < orders; o++) {
                ask("refuse", r, o);
            }
        }
    }

    private void roomLeft() {
        ask("rain", 0, 1439, 1);
        ask("kitchen", 0, 1);
        ask("order", 0, 0, 10, 0);
        ask("rider", 0, 0);
        ask("seen", 0, 0, 0);
        int riders = run.call("count", 4);
        for (int r = 0; r < riders; r++) {
            ask("app", r, 0, 1);
        }
        ask("wipe");
    }

    private void sheets() {
        for (int s = 0; s < 4; s++) {
            ask("judge", s, 0);
            ask("roads", s);
            for (int t = 0; t < 4; t++) {
                ask("copy", s, 0, t, 0, 0);
            }
        }
        for (int a = 0; a < 6; a++) {
            for (int b = 0; b < 6; b++) {
                ask("way", a, b);
            }
        }
        for (int s = 0; s < 4; s++) {
            for (int i = 0; i <= 60; i++) {
                ask("write", s, i, 0);
            }
        }
    }

    /** Of the first RIDERS and ORDERS alone, as an object has 512 calls. */
    private void trips() {
        int riders = Math.min(5, run.call("count", 4));
        int orders = Math.min(8, run.call("count", 2));
        for (int r = 0; r < riders; r++) {
            for (int o = 0; o < orders; o++) {
                ask("trip", r, o, 0);
                ask("trip", r, o, 1);
            }
            for (int c = 0; c < 4; c++) {
                ask("goes", r, c, 3 - c);
            }
            ask("ban", r, 50, 1);
            ask("ban", r, 49, 2);
        }
        int texts = run.call("count", 5);
        for (int t = 0; t < texts; t++) {
            for (int o = 0; o < orders; o++) {
                ask("whom", t, o);
            }
        }
    }

    private void joins() {
        int riders = Math.min(4, run.call("count", 4));
        int orders = Math.min(7, run.call("count", 2));
        for (int r = 0; r < riders; r++) {
            for (int one = 0; one < orders; one++) {
                for (int other = one + 1; other < orders; other++) {
                    ask("join", r, one, other, 0);
                    ask("join", r, other, one, 2);
                }
            }
        }
    }

    private void image() {
        ask("undo");
        town();
        ask("tear");
    }
}

/** Shops in which much stands, and all that can be seen of one, as a text to compare. */
final class Scene {
    private Scene() {
    }

    /** Beards 0 to 3 (1 is on wearer 0, 3 on wearer 1), wearers 0 to 2, sheet 3 MISSING, an image, a TAPE. */
    static BeardHire busy() {
        BeardHire x = Due.told("beard;ginger fame 60 hoard 7;white;imperial fame 30;"
            + "wearer 100;wearer 200 round 5;wearer 40;hire 0 1;hire 1 3");
        x.image();
        x.nights(3);
        x.mood(4, -20);
        x.recall(5, 2);
        x.set(0, 2, 77);
        x.sheet(0, 8, 2);
        x.write(0, 1, -7);
        x.sheet(1, 16, 3);
        x.write(1, 2, 300);
        x.sheet(2, 64, 1);
        x.write(2, 0, 1L << 40);
        Due.feed(x, "bear");
        return x;
    }

    /** As busy, with 8 beards and 6 wearers; wearers 2 to 5 and beards 0, 2, 4 to 7 have none. */
    static BeardHire full() {
        BeardHire x = busy();
        for (int i = 4; i < 8; i++) {
            x.beard(i - 4);
        }
        for (int i = 3; i < 6; i++) {
            x.wearer(10 * i);
        }
        return x;
    }

    /** As busy, with all four beards on wearers and wearer 4 with none. */
    static BeardHire hiredOut() {
        BeardHire x = busy();
        x.hire(2, 0);
        x.wearer(500);
        x.hire(3, 2);
        x.wearer(600);
        return x;
    }

    /** As busy, with no place on THE TAPE for more than so many bytes. */
    static BeardHire taped(int room) {
        BeardHire x = busy();
        Due.feed(x, "d" + " ".repeat(115 - room));
        return x;
    }

    /** What is seen without changing anything; the same calls whatever is there, and no findings. */
    static String seen(BeardHire x) {
        StringBuilder all = new StringBuilder();
        for (int house = 0; house < 6; house++) {
            all.append("\nhouse ").append(house);
            for (int what = 0; what < 3; what++) {
                all.append(' ').append(x.houseOf(house, what));
            }
        }
        for (int b = 0; b < x.count(0); b++) {
            all.append("\nbeard ").append(b);
            for (int what = 0; what < 4; what++) {
                all.append(' ').append(x.of(b, what));
            }
        }
        for (int w = 0; w < x.count(1); w++) {
            all.append("\nwearer ").append(w);
            for (int what = 0; what < 3; what++) {
                all.append(' ').append(x.wearerOf(w, what));
            }
        }
        all.append("\nnow ").append(x.now(0)).append(' ').append(x.now(2)).append(' ').append(x.now(3));
        all.append("\ntape ").append(x.count(2));
        return all.toString();
    }

    /** The numbers of the sheets that busy() lays out; each is put back. */
    static String sheets(BeardHire x) {
        StringBuilder all = new StringBuilder("\nsheets");
        int[] lengths = {2, 3, 1};
        for (int s = 0; s < lengths.length; s++) {
            for (int i = 0; i < lengths[s]; i++) {
                long was = x.write(s, i, 0);
                x.write(s, i, was);
                all.append(' ').append(was);
            }
        }
        return all.toString();
    }

    /** What can be seen only by changing it: how long the sheets are, what is kept, what THE TAPE says. */
    static String hidden(BeardHire x) {
        StringBuilder all = new StringBuilder("\nhidden");
        for (int s = 0; s < 4; s++) {
            all.append(' ').append(x.write(s, 0, 1L << 62 | 0x17f80)).append(' ').append(x.write(s, 0, 0));
            for (int i = 1; i < 5; i++) {
                all.append(' ').append(x.write(s, i, 0) <= Due.BEYOND ? "none" : "one");
            }
        }
        x.feed('d', 1);
        all.append("\nshop ").append(x.shop()).append(" with ").append(x.count(0)).append(" beards");
        all.append("\nundo ").append(x.undo()).append(seen(x));
        all.append("\ntear ").append(x.tear());
        return all.toString();
    }
}

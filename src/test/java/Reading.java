/** All that can be asked of an object, as a text; and its checksum, reckoned from outside. */
final class Reading {
    private Reading() {
    }

    static String withoutHouse(Spanbooker x) {
        StringBuilder all = new StringBuilder();
        for (int cell = 0; cell < 4; cell++) {
            all.append(x.text(cell)).append(' ').append(x.at(cell)).append(' ').append(x.freeAt(cell)).append('\n');
        }
        for (int what = 0; what < 4; what++) {
            all.append(x.calendar(what)).append(' ');
        }
        for (int k = 0; k < x.spans(); k++) {
            all.append("\nspan ").append(span(x, k));
        }
        for (int k = 0; k < x.wishes(); k++) {
            all.append("\nwish ").append(wish(x, k));
        }
        return all.toString();
    }

    static String moment(int second, int nano) {
        return second + " " + nano;
    }

    static String span(Spanbooker x, int k) {
        return moment(x.ofSpan(k, 0), x.ofSpan(k, 1)) + " to " + moment(x.ofSpan(k, 2), x.ofSpan(k, 3))
                + (x.ofSpan(k, 4) == 1 ? " over" : "");
    }

    static String free(Spanbooker x, int k) {
        return moment(x.ofFree(k, 0), x.ofFree(k, 1)) + " to " + moment(x.ofFree(k, 2), x.ofFree(k, 3));
    }

    static String wish(Spanbooker x, int k) {
        return moment(x.ofWish(k, 0), x.ofWish(k, 1)) + " to " + moment(x.ofWish(k, 2), x.ofWish(k, 3));
    }

    static String calendar(Spanbooker x) {
        return moment(x.calendar(0), x.calendar(1)) + " to " + moment(x.calendar(2), x.calendar(3));
    }

    static String length(Spanbooker x, int what) {
        return moment(x.length(what), x.length(what + 1));
    }

    static long digest(Spanbooker x) {
        long d = 8009;
        for (int cell = 0; cell < 4; cell++) {
            d = d * 31 + x.second(cell);
            d = d * 31 + x.nano(cell);
            d = d * 31 + x.at(cell);
            d = d * 31 + x.freeAt(cell);
        }
        for (int what = 0; what < 4; what++) {
            d = d * 31 + x.calendar(what);
        }
        d = d * 31 + x.spans();
        for (int k = 0; k < x.spans(); k++) {
            for (int what = 0; what < 5; what++) {
                d = d * 31 + x.ofSpan(k, what);
            }
        }
        d = d * 31 + x.clashes();
        d = d * 31 + x.deepest();
        d = d * 31 + x.frees();
        for (int k = 0; k < x.frees(); k++) {
            for (int what = 0; what < 4; what++) {
                d = d * 31 + x.ofFree(k, what);
            }
        }
        for (int what = 0; what < 6; what++) {
            d = d * 31 + x.length(what);
        }
        d = d * 31 + x.wishes();
        for (int k = 0; k < x.wishes(); k++) {
            for (int what = 0; what < 4; what++) {
                d = d * 31 + x.ofWish(k, what);
            }
            d = d * 31 + x.room(k);
        }
        d = d * 31 + x.chosen();
        d = d * 31 + x.most(1);
        d = d * 31 + x.crowd();
        for (int what = 0; what < 3; what++) {
            d = d * 31 + x.house(what);
        }
        return d * 31 + (x.isSound() ? 1 : 0);
    }
}

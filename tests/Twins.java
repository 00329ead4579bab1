/**
 * Rings made twice by the same calls: one of them is asked what is refused, then both are asked
 * everything, and must tell the same.
 */
final class Twins {
    interface Maker {
        BoltRing make();
    }

    interface Call {
        long on(BoltRing x);
    }

    private Twins() { }

    static void refused(Check c, int promise, String what, Maker maker, Call call, long due) {
        BoltRing asked = maker.make();
        c.due(promise, what, call.on(asked), due);
        c.holds(promise, what + " changes nothing", everything(asked).equals(everything(maker.make())));
    }

    /** A ring with something of all that there is; its latest orders were sound and done, its text is sound. */
    static BoltRing rich(int n) {
        BoltRing x = Check.ringOf(n, 3);
        for (int k = 0; k < n; k++) {
            x.set(k, 0, 2 + k);
            x.set(k, 1, 9 - k);
            x.set(k, 2, 14 + 2 * k);
        }
        x.broken(n - 1, true);
        x.row(Check.backward(n));
        x.weights(2, 3, 4);
        x.newCase();
        x.newCase();
        x.newCase();
        x.load(0, 1, 50);
        x.load(1, n - 1, 70);
        x.reading(0, 0, 40);
        x.reading(1, 5, 200);
        Check.read(x, "load 0 by 9;load 1 by 30;");
        Check.feed(x, "pass 21;draw 0 to 33;");
        return x;
    }

    /** As rich, but its latest orders had a fault, and its text has one. */
    static BoltRing faulty(int n) {
        BoltRing x = rich(n);
        x.read();
        Check.read(x, "mend 0;load 0 to 9;");
        Check.feed(x, "pass 21;row 0 0;");
        return x;
    }

    /** All bolts but the first broken, six cases, readings of all, a text of 160 bytes. */
    static BoltRing full(int n) {
        BoltRing x = Check.ringOf(n, 9);
        Check.setAll(x, 2, 40, 30, 20);
        for (int k = 1; k < n; k++) {
            x.broken(k, true);
        }
        for (int i = 0; i < 6; i++) {
            x.newCase();
            x.load(i, i % n, 20 * i);
        }
        for (int k = 0; k < n; k++) {
            x.reading(k, 0, 300);
        }
        Check.feed(x, "load 0 by 7;pass 60;" + " ".repeat(140));
        return x;
    }

    /** All that the calls tell of a ring, the text by reading it. */
    static String everything(BoltRing x) {
        StringBuilder all = new StringBuilder(Check.state(x));
        int n = x.count(0);
        for (int k = 0; k < n; k++) {
            for (int force = 0; force < 3; force++) {
                all.append(Check.force(x, k, force)).append(' ');
            }
        }
        for (int i = -1; i < x.count(5); i++) {
            all.append(x.leak(i, 2)).append(' ').append(Check.leak(x, i)).append(' ');
            for (int k = 0; k < n && i >= 0; k++) {
                int load = x.load(i, k, 0);
                x.load(i, k, load);
                all.append(load).append(' ');
            }
        }
        all.append(x.worst()).append(' ').append(x.weakest()).append(' ');
        for (int low = 0; low < 40; low += 10) {
            all.append(x.chance(low, low + 50, 0)).append('/').append(x.chance(low, low + 50, 1)).append(' ');
        }
        all.append(x.fit()).append(' ').append(x.suspect(-1)).append(' ').append(x.suspect(0)).append(' ');
        all.append(x.best(30, 0)).append(' ').append(x.even(30, -1)).append(' ').append(x.fault()).append(' ');
        all.append(x.pass(25)).append(' ').append(Check.state(x)).append(x.read()).append(' ');
        return all.append(x.fault()).append(' ').append(Check.state(x)).append(x.forget()).toString();
    }
}

/** Mills to ask at: one that nothing was told, one told some of everything, one told as much as it takes. */
final class Mills {
    /** Of twelve clauses, with every kind of them, as deep and long as they may be. */
    private static final String TWELVE = "stand 0 gap (((((gap-in/900))))) unless not not not not not not gauge=aim;"
            + "stand 1 gap gap unless 1;stand 1 gap gap-1;stand 2 gap 99999*pull;stand 4 gap hard*9+tick;"
            + "late 9;late 2;drift 99999;drift 5;tear 99999;loop 99999;stand 4 gap 5;";
    private static final String TAPED = "late 1;drift 3;     ";

    private Mills() {
    }

    static RollMill empty() {
        return new RollMill();
    }

    static RollMill some() {
        RollMill mill = new RollMill();
        mill.stand(100, 9000, 100, 3000, 50, 10, 1000, 2);
        mill.stand(200, 9000, 50, 3000, 40, 11, 900, 3);
        mill.point(100, 1000);
        mill.point(300, 2000);
        mill.gap(0, 900);
        mill.gap(1, 800);
        for (int i = 0; i < 3; i++) {
            mill.segment(1000 - 7 * i, 10 + i);
            mill.pass(1000 - 50 * i);
            mill.order(100 + i, 1000 + 60 * i, 5, 8);
        }
        Check.rules(mill, "stand 0 gap gap-(gauge-aim)/2 unless gauge=0;late 1;drift 2;");
        mill.run(850);
        mill.change(1);
        mill.plan(1000, 10, 900);
        mill.row();
        tellReadings(mill, 4);
        mill.evenings(2);
        mill.back(3);
        mill.feed(five(0), five(1), five(2), five(3), five(4));
        return mill;
    }

    private static void tellReadings(RollMill mill, int many) {
        for (int i = 0; i < many; i++) {
            mill.reading(9 * (i & 1), i * 7 % 40, 900 + i);
        }
    }

    private static int five(int i) {
        int number = 0;
        for (int at = 4 * i; at < 4 * i + 4; at++) {
            number = number << 8 | TAPED.charAt(at);
        }
        return number;
    }

    static RollMill full() {
        RollMill mill = new RollMill();
        for (int s = 0; s < 5; s++) {
            mill.stand(900 + s, 9_999_999, 0, 60_000, 60_000, 10 + s, 500, 9);
            mill.gap(s, 900 - 100 * s);
        }
        for (int i = 1; i <= 10; i++) {
            mill.point(6000 * i, 9000 * i);
        }
        for (int i = 0; i < 40; i++) {
            mill.segment(1000 + i, 60 + i);
        }
        for (int i = 0; i < 12; i++) {
            mill.pass(1000 - 50 * i);
        }
        for (int i = 0; i < 9; i++) {
            mill.order(1 + i % 4, 1 + 90 * (i % 5), 9, 5 * i);
        }
        Check.same("twelve clauses", Check.rules(mill, TWELVE), 0);
        mill.run(600);
        mill.plan(1000, 50, 450);
        mill.row();
        tellReadings(mill, 100);
        mill.evenings(99);
        mill.back(50);
        for (int i = 0; i < 20; i++) {
            mill.feed(five(0), five(1), five(2), five(3), five(4));
        }
        return mill;
    }
}

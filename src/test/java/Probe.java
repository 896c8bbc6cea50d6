/**
 * Ways to look at an object so that two can be held side by side. But for STATE each uses the
 * object up, so that each wants one of its own (and none comes near its 512th call).
 */
enum Probe {
    /** What can be seen without changing it, but for what told() tells. */
    STATE {
        @Override
        String of(ChairViews x) {
            return Due.seen(x);
        }
    },
    IMAGE {
        @Override
        String of(ChairViews x) {
            return x.restore() + " " + Due.seen(x) + tapeAndWaiting(x) + x.image();
        }
    },
    TAPE_AND_WAITING {
        @Override
        String of(ChairViews x) {
            return tapeAndWaiting(x);
        }
    },
    /** The first numbers, the last, how many there are, the bits. */
    SHEETS {
        @Override
        String of(ChairViews x) {
            StringBuilder all = new StringBuilder();
            for (int member = x.count(1); member < 6; member++) {
                x.member(0);
            }
            for (int sheet = 0; sheet < 4; sheet++) {
                all.append(x.judge(sheet)).append(' ').append(numbers(x, sheet));
            }
            return all.toString();
        }
    };

    abstract String of(ChairViews x);

    /** A text that lacks its last number gets one; what waits is told by the first that isn't so. */
    private static String tapeAndWaiting(ChairViews x) {
        String all = x.check() + " " + x.feed('1', 1) + " ";
        int use = x.count(0) > 4 ? 0 : 1;
        all += x.text(use) + " ";
        for (int i = 0; i < 4; i++) {
            all += x.law(use, i, 2 * i, 3 * i) + " ";
        }
        return all;
    }

    private static String numbers(ChairViews x, int sheet) {
        StringBuilder all = new StringBuilder();
        int last = 39;
        while (last >= 0 && x.move(sheet, last, sheet, last, 1) != 1) {
            last--;
        }
        all.append(last).append(": ").append(asSpeeds(x, sheet));
        x.move(sheet, last, sheet, 0, 1);
        all.append(asSpeeds(x, sheet));
        x.put(sheet, 0, 256 + 7);
        all.append(x.speeds(sheet) > 0 ? " 8 bits" : " more");
        x.put(sheet, 0, 65536 + 7);
        return all.append(x.speeds(sheet) > 0 ? " 16 bits; " : " more; ").toString();
    }

    private static String asSpeeds(ChairViews x, int sheet) {
        StringBuilder all = new StringBuilder().append(x.speeds(sheet));
        for (int member = 0; member < 6; member++) {
            all.append(' ').append(x.ofMember(member, 0));
        }
        return all.append(", ").toString();
    }
}

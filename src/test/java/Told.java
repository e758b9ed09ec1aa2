/** What the tests at the boundaries share: texts of cases, and all that can be looked at of an object. */
final class Told {
    private Told() {
    }

    /** So many held: a, b, c and on, of salt 1. */
    static String helds(int many) {
        StringBuilder text = new StringBuilder();
        for (int k = 0; k < many; k++) {
            text.append("held ").append((char) ('a' + k)).append(" salt 1;");
        }
        return text.toString();
    }

    /** Holders p, q, r and on, who have a, b, c and on and want the letters of the word. */
    static String holders(String wanted, int purse) {
        StringBuilder text = new StringBuilder();
        for (int k = 0; k < wanted.length(); k++) {
            text.append("holder ").append((char) ('p' + k)).append(" has ").append((char) ('a' + k));
            text.append(" wants ").append(wanted.charAt(k)).append(" purse ").append(purse).append(';');
        }
        return text.toString();
    }

    /** As many held as holders, five coins each. */
    static String people(String wanted) {
        return helds(wanted.length()) + holders(wanted, 5);
    }

    /** Feuds of so many pairs of p, q, r and on, the first pairs by numbers. */
    static String feuds(int holders, int many) {
        StringBuilder text = new StringBuilder();
        int told = 0;
        for (int i = 0; i < holders; i++) {
            for (int j = i + 1; j < holders && told < many; j++) {
                text.append("feud ").append((char) ('p' + i)).append(' ').append((char) ('p' + j)).append(';');
                told++;
            }
        }
        return text.toString();
    }

    /** An object in the midst of its use: judged, noted, tried, wanted, nights over, an image written. */
    static WrongCook used() {
        WrongCook x = Check.opened(people("bca") + "values p b 7;sister a c;pays 1;fog 10;");
        Check.judge(x, 0, 1);
        Check.note(x, 0, 1, 0, 2, 2, 1);
        Check.ring(x, 0, 1);
        x.want(2, 1);
        x.nights(2);
        x.image();
        return x;
    }

    /** All that can be looked at, but for faults and refusals. */
    static String state(WrongCook x) {
        StringBuilder all = new StringBuilder("has");
        for (int what = 0; what <= 10; what++) {
            all.append(' ').append(x.has(what));
        }
        for (int held = 0; held < x.has(0); held++) {
            all.append("; held");
            for (int what = 0; what < 4; what++) {
                all.append(' ').append(x.held(held, what));
            }
            all.append(' ').append(x.on(held)).append(' ').append(x.letter(0, held, 0));
        }
        for (int holder = 0; holder < x.has(1); holder++) {
            all.append("; holder");
            for (int what = 0; what < 5; what++) {
                all.append(' ').append(x.holder(holder, what));
            }
            all.append(' ').append(x.can(holder)).append(' ').append(x.letter(1, holder, 0));
            for (int other = 0; other < x.has(1); other++) {
                all.append(' ').append(x.met(holder, other));
            }
            for (int held = 0; held < x.has(0); held++) {
                all.append(' ').append(x.values(holder, held));
            }
        }
        for (int k = 0; k < x.has(8); k++) {
            all.append("; kept");
            for (int what = 0; what < 4; what++) {
                all.append(' ').append(x.kept(k, what));
            }
        }
        all.append("; judged ").append(x.judged(0)).append(' ').append(x.judged(1));
        all.append("; ways ").append(x.can(WrongCook.NONE)).append("; image");
        for (int k = 0; x.octet(k) >= 0; k++) {
            all.append(' ').append(x.octet(k));
        }
        return all.toString();
    }

    static String refusals(WrongCook x) {
        StringBuilder all = new StringBuilder();
        for (int what = 0; what < 6; what++) {
            all.append(x.status(what)).append(' ');
        }
        return all.toString();
    }

    /** The octets with the last one made to fit those ahead. */
    static int[] sealed(int... octets) {
        int check = 17;
        for (int k = 0; k < octets.length - 1; k++) {
            check = (3 * check + octets[k]) % 251;
        }
        if (octets.length > 0) {
            octets[octets.length - 1] = check;
        }
        return octets;
    }

    /** An image with one octet changed, and the last one made to fit. */
    static int[] changed(int[] image, int place, int octet) {
        int[] other = image.clone();
        other[place] = octet;
        return sealed(other);
    }

    /** What a text with a ^ at the byte of its fault says, without it. */
    static String unmarked(String text) {
        int place = text.indexOf('^');
        return text.substring(0, place) + text.substring(place + 1);
    }
}

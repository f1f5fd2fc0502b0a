/** Draws circuits from short texts. */
final class Draw {
    private Draw() {
    }

    /** Adds nets, and parts and ports: a part as its label, as "r47:0:2", a port as letter and net, as "a=0". */
    static void on(Netcompare x, int circuit, int nets, String members) {
        for (int net = 0; net < nets; net++) {
            x.addNet(circuit);
        }
        for (String member : members.trim().split("\\s+")) {
            if (member.contains("=")) {
                x.setPort(circuit, member.charAt(2) - '0', member.charAt(0));
            } else if (!member.isEmpty()) {
                part(x, circuit, member);
            }
        }
    }

    static int part(Netcompare x, int circuit, String label) {
        String[] pieces = label.split(":");
        int value = Integer.parseInt(pieces[0].substring(1));
        int third = pieces.length > 3 ? Integer.parseInt(pieces[3]) : -1;
        return x.addPart(circuit, label.charAt(0), value,
                Integer.parseInt(pieces[1]), Integer.parseInt(pieces[2]), third);
    }

    static Netcompare both(int nets, String wished, String drawn) {
        Netcompare x = new Netcompare();
        on(x, 0, nets, wished);
        on(x, 1, nets, drawn);
        return x;
    }

    static Netcompare one(int nets, String wished) {
        Netcompare x = new Netcompare();
        on(x, 0, nets, wished);
        return x;
    }

    /** All labels of the parts of a circuit, '-' for one that is removed or missing. */
    static String labels(Netcompare x, int circuit) {
        StringBuilder all = new StringBuilder();
        for (int part = 0; part < 10; part++) {
            int at = part;
            String length = Check.answerOf(() -> x.labelLength(circuit, at));
            if (length.equals(Check.ELEMENT)) {
                all.append('-');
                continue;
            }
            all.append(part == 0 ? "" : " ");
            for (int index = 0; index < Integer.parseInt(length); index++) {
                all.append(x.labelAt(circuit, part, index));
            }
        }
        return all.toString();
    }
}

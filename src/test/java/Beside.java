import java.util.ArrayList;
import java.util.List;

/** The class and its model side by side: each call goes to both of them. */
final class Beside {
    final Model model = new Model();
    final Hearingpay real = new Hearingpay();
    /** The calls up to now with their answers. */
    final List<String> calls = new ArrayList<>();

    /** Whether both tell the same of all matters and hearings, and of who is where in the hours round now. */
    boolean sameInAll() {
        boolean isSame = same("hour") & same("balances");
        for (int what = 0; what < 8; what++) {
            for (int m = 0; m < model.matterCount(); m++) {
                isSame &= same("about", m, what);
            }
            for (int h = 0; h < model.hearingCount(); h++) {
                isSame &= same("hearing", h, what);
            }
        }
        for (int hour = Math.max(0, model.hour() - 1); hour <= Math.min(1003, model.hour() + 11); hour++) {
            for (int interpreter = 0; interpreter < 4; interpreter++) {
                isSame &= same("paidBy", interpreter, hour) & same("at", 3, interpreter, hour);
            }
        }
        return isSame;
    }

    boolean same(String call, int... a) {
        String due;
        try {
            due = ofModel(call, a);
        } catch (Model.Refusal e) {
            due = "throws " + e.kind;
        }
        String got = Check.answer(real, x -> ofReal(call, a));
        boolean isSame = got.equals(due);
        calls.add(call + java.util.Arrays.toString(a) + " = " + got + (isSame ? "" : ", due is " + due));
        return isSame;
    }

    private String ofModel(String call, int... a) {
        switch (call) {
            case "interpreter": return "" + model.interpreter(a[0], a[1], a[2]);
            case "waive": return "" + model.waive(a[0], a[1] == 1);
            case "file": return "" + model.file(a[0], a[1], a[2], a[3]);
            case "pay": return "" + model.pay(a[0], a[1]);
            case "decide": return "" + model.decide(a[0]);
            case "appeal": return "" + model.appeal(a[0]);
            case "settle": return "" + model.settle(a[0], a[1] == 1);
            case "close": return "" + model.close(a[0]);
            case "plan": return "" + model.plan(a[0], a[1], a[2], a[3], a[4]);
            case "move": return "" + model.move(a[0], a[1], a[2], a[3]);
            case "drop": return "" + model.drop(a[0]);
            case "notice": return "" + model.notice(a[0], a[1]);
            case "pass": return "" + model.pass(a[0]);
            case "clash": return "" + model.clash(a[0], a[1], a[2], a[3], a[4]);
            case "at": return "" + model.at(a[0], a[1], a[2]);
            case "about": return "" + model.about(a[0], a[1]);
            case "hearing": return "" + model.hearing(a[0], a[1]);
            case "paidBy": return "" + model.paidBy(a[0], a[1]);
            case "balances": return "" + model.balances();
            default: return "" + model.hour();
        }
    }

    private String ofReal(String call, int... a) {
        switch (call) {
            case "interpreter": return "" + real.interpreter(a[0], a[1], a[2]);
            case "waive": return "" + real.waive(a[0], a[1] == 1);
            case "file": return "" + real.file(a[0], a[1], a[2], a[3]);
            case "pay": return "" + real.pay(a[0], a[1]);
            case "decide": return "" + real.decide(a[0]);
            case "appeal": return "" + real.appeal(a[0]);
            case "settle": return "" + real.settle(a[0], a[1] == 1);
            case "close": return "" + real.close(a[0]);
            case "plan": return "" + real.plan(a[0], a[1], a[2], a[3], a[4]);
            case "move": return "" + real.move(a[0], a[1], a[2], a[3]);
            case "drop": return "" + real.drop(a[0]);
            case "notice": return "" + real.notice(a[0], a[1]);
            case "pass": return "" + real.pass(a[0]);
            case "clash": return "" + real.clash(a[0], a[1], a[2], a[3], a[4]);
            case "at": return "" + real.at(a[0], a[1], a[2]);
            case "about": return "" + real.about(a[0], a[1]);
            case "hearing": return "" + real.hearing(a[0], a[1]);
            case "paidBy": return "" + real.paidBy(a[0], a[1]);
            case "balances": return "" + real.balances();
            default: return "" + real.hour();
        }
    }
}

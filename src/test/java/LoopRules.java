import com.sun.source.tree.ArrayAccessTree;
import com.sun.source.tree.AssignmentTree;
import com.sun.source.tree.BinaryTree;
import com.sun.source.tree.CompoundAssignmentTree;
import com.sun.source.tree.DoWhileLoopTree;
import com.sun.source.tree.ExpressionTree;
import com.sun.source.tree.ForLoopTree;
import com.sun.source.tree.IdentifierTree;
import com.sun.source.tree.MemberSelectTree;
import com.sun.source.tree.MethodInvocationTree;
import com.sun.source.tree.MethodTree;
import com.sun.source.tree.ParenthesizedTree;
import com.sun.source.tree.Tree;
import com.sun.source.tree.UnaryTree;
import com.sun.source.tree.WhileLoopTree;
import com.sun.source.util.TreePath;
import com.sun.source.util.TreePathScanner;
import com.sun.source.util.Trees;
import java.util.ArrayList;
import java.util.EnumSet;
import java.util.HashMap;
import java.util.HashSet;
import java.util.List;
import java.util.Map;
import java.util.Set;
import javax.lang.model.element.Element;
import javax.lang.model.element.ElementKind;

/**
 * Rule 9 of LANGUAGE.md: among what a loop asks at every turn there is a counter against a bound, where the loop
 * changes the counter by its own lines, and neither its lines nor the methods that it calls change the bound.
 */
final class LoopRules extends TreePathScanner<Void, Void> {
    private static final Set<Tree.Kind> COMPARED = EnumSet.of(Tree.Kind.LESS_THAN, Tree.Kind.LESS_THAN_EQUAL,
        Tree.Kind.GREATER_THAN, Tree.Kind.GREATER_THAN_EQUAL);

    private record Loop(TreePath place, ExpressionTree asked) {
    }

    private final Trees trees;
    private final Map<Element, TreePath> methods = new HashMap<>();
    private final List<Loop> loops = new ArrayList<>();

    LoopRules(Trees trees) {
        this.trees = trees;
    }

    /** The loops, of all that were gone through, whose end can't be seen. */
    List<String> endless() {
        List<String> all = new ArrayList<>();
        for (Loop loop : loops) {
            if (!ends(loop)) {
                all.add("a loop has no bound that stays: " + loop.asked());
            }
        }
        return all;
    }

    @Override
    public Void visitMethod(MethodTree tree, Void nothing) {
        methods.put(trees.getElement(getCurrentPath()), getCurrentPath());
        return super.visitMethod(tree, nothing);
    }

    @Override
    public Void visitForLoop(ForLoopTree tree, Void nothing) {
        loops.add(new Loop(getCurrentPath(), tree.getCondition()));
        return super.visitForLoop(tree, nothing);
    }

    @Override
    public Void visitWhileLoop(WhileLoopTree tree, Void nothing) {
        loops.add(new Loop(getCurrentPath(), tree.getCondition()));
        return super.visitWhileLoop(tree, nothing);
    }

    @Override
    public Void visitDoWhileLoop(DoWhileLoopTree tree, Void nothing) {
        loops.add(new Loop(getCurrentPath(), tree.getCondition()));
        return super.visitDoWhileLoop(tree, nothing);
    }

    private boolean ends(Loop loop) {
        Changes own = new Changes();
        own.scan(loop.place(), null);
        Set<Element> all = new HashSet<>(own.changed);
        Set<Element> seen = new HashSet<>();
        List<Element> open = new ArrayList<>(own.called);
        while (!open.isEmpty()) {
            Element called = open.remove(open.size() - 1);
            if (seen.add(called) && methods.containsKey(called)) {
                Changes inside = new Changes();
                inside.scan(methods.get(called), null);
                all.addAll(inside.changed);
                open.addAll(inside.called);
            }
        }
        return asks(loop.place(), loop.asked(), own.changed, all);
    }

    /** Whether one of the conditions joined by && compares what the loop changes with what stays. */
    private boolean asks(TreePath place, ExpressionTree asked, Set<Element> own, Set<Element> all) {
        if (asked instanceof ParenthesizedTree inner) {
            return asks(place, inner.getExpression(), own, all);
        }
        if (asked instanceof BinaryTree both && both.getKind() == Tree.Kind.CONDITIONAL_AND) {
            return asks(place, both.getLeftOperand(), own, all) || asks(place, both.getRightOperand(), own, all);
        }
        if (!(asked instanceof BinaryTree both) || !COMPARED.contains(both.getKind())) {
            return false;
        }
        Set<Element> left = named(place, both.getLeftOperand());
        Set<Element> right = named(place, both.getRightOperand());
        return meets(left, own) && !meets(right, all) || meets(right, own) && !meets(left, all);
    }

    private static boolean meets(Set<Element> some, Set<Element> others) {
        for (Element one : some) {
            if (others.contains(one)) {
                return true;
            }
        }
        return false;
    }

    private Set<Element> named(TreePath place, Tree tree) {
        Names names = new Names();
        names.scan(TreePath.getPath(place, tree), null);
        return names.all;
    }

    /** The variables and fields that stand in an expression. */
    private final class Names extends TreePathScanner<Void, Void> {
        final Set<Element> all = new HashSet<>();

        @Override
        public Void visitIdentifier(IdentifierTree tree, Void nothing) {
            all.add(trees.getElement(getCurrentPath()));
            return super.visitIdentifier(tree, nothing);
        }

        @Override
        public Void visitMemberSelect(MemberSelectTree tree, Void nothing) {
            all.add(trees.getElement(getCurrentPath()));
            return super.visitMemberSelect(tree, nothing);
        }
    }

    /** What some lines change by themselves, and the methods that they call. */
    private final class Changes extends TreePathScanner<Void, Void> {
        final Set<Element> changed = new HashSet<>();
        final List<Element> called = new ArrayList<>();

        @Override
        public Void visitAssignment(AssignmentTree tree, Void nothing) {
            change(tree.getVariable());
            return super.visitAssignment(tree, nothing);
        }

        @Override
        public Void visitCompoundAssignment(CompoundAssignmentTree tree, Void nothing) {
            change(tree.getVariable());
            return super.visitCompoundAssignment(tree, nothing);
        }

        @Override
        public Void visitUnary(UnaryTree tree, Void nothing) {
            if (tree.getKind().toString().endsWith("CREMENT")) {
                change(tree.getExpression());
            }
            return super.visitUnary(tree, nothing);
        }

        @Override
        public Void visitMethodInvocation(MethodInvocationTree tree, Void nothing) {
            Element method = trees.getElement(new TreePath(getCurrentPath(), tree.getMethodSelect()));
            if (method != null && method.getKind() == ElementKind.METHOD) {
                called.add(method);
            }
            return super.visitMethodInvocation(tree, nothing);
        }

        private void change(ExpressionTree target) {
            // A changed element leaves the row itself, and so its length, as it is.
            if (!(target instanceof ArrayAccessTree)) {
                changed.add(trees.getElement(new TreePath(getCurrentPath(), target)));
            }
        }
    }
}

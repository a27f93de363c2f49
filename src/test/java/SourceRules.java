import com.sun.source.tree.BinaryTree;
import com.sun.source.tree.BlockTree;
import com.sun.source.tree.ClassTree;
import com.sun.source.tree.ImportTree;
import com.sun.source.tree.LineMap;
import com.sun.source.tree.MethodInvocationTree;
import com.sun.source.tree.MethodTree;
import com.sun.source.tree.NewClassTree;
import com.sun.source.tree.Tree;
import com.sun.source.tree.TypeCastTree;
import com.sun.source.tree.VariableTree;
import com.sun.source.util.TreePath;
import com.sun.source.util.TreePathScanner;
import com.sun.source.util.Trees;
import java.util.ArrayList;
import java.util.EnumSet;
import java.util.List;
import java.util.Map;
import java.util.Set;
import java.util.TreeMap;
import java.util.TreeSet;
import javax.lang.model.element.Element;
import javax.lang.model.element.ElementKind;
import javax.lang.model.element.Modifier;
import javax.lang.model.element.TypeElement;
import javax.lang.model.type.ArrayType;
import javax.lang.model.type.TypeKind;
import javax.lang.model.type.TypeMirror;

/** Goes through a source as the compiler reads it, and keeps what breaks a rule and which method calls which. */
final class SourceRules extends TreePathScanner<Void, Void> {
    private static final Set<Tree.Kind> BANNED = EnumSet.of(Tree.Kind.THROW, Tree.Kind.TRY, Tree.Kind.CATCH,
        Tree.Kind.SYNCHRONIZED, Tree.Kind.ASSERT, Tree.Kind.LAMBDA_EXPRESSION, Tree.Kind.MEMBER_REFERENCE,
        Tree.Kind.ANNOTATION, Tree.Kind.YIELD, Tree.Kind.SWITCH_EXPRESSION, Tree.Kind.PACKAGE);
    private static final Set<String> LIBRARY = Set.of("Math.max", "Math.min", "Math.abs", "Math.floorDiv",
        "Math.floorMod", "Integer.bitCount", "Integer.compare", "Long.compare", "Long.bitCount", "System.arraycopy",
        "Arrays.copyOf", "Arrays.copyOfRange", "Arrays.fill");
    private static final Set<String> IMPORTS = Set.of("java.util.Arrays", "java.util.ArrayList", "java.util.List");
    private static final int MOST_LINES = 60, MOST_TAKEN = 7;

    final List<String> broken = new ArrayList<>();
    final Map<String, Set<String>> calls = new TreeMap<>();
    private final Trees trees;
    private String method = "";

    SourceRules(Trees trees) {
        this.trees = trees;
    }

    @Override
    public Void scan(Tree tree, Void nothing) {
        if (tree != null && BANNED.contains(tree.getKind())) {
            tell(tree.getKind() + " is there");
        }
        return super.scan(tree, nothing);
    }

    @Override
    public Void visitImport(ImportTree tree, Void nothing) {
        if (!IMPORTS.contains(tree.getQualifiedIdentifier().toString())) {
            tell(tree + " is there");
        }
        return null;
    }

    @Override
    public Void visitClass(ClassTree tree, Void nothing) {
        boolean outer = getCurrentPath().getParentPath().getLeaf().getKind() == Tree.Kind.COMPILATION_UNIT;
        if (!outer && !tree.getModifiers().getFlags().contains(Modifier.STATIC)) {
            tell("class " + tree.getSimpleName() + " is not static");
        }
        for (Tree member : tree.getMembers()) {
            if (member instanceof BlockTree block && block.isStatic()) {
                tell("a static block is there");
            }
        }
        return super.visitClass(tree, nothing);
    }

    @Override
    public Void visitMethod(MethodTree tree, Void nothing) {
        String before = method;
        method = nameOf(trees.getElement(getCurrentPath()));
        calls.putIfAbsent(method, new TreeSet<>());
        if (tree.getParameters().size() > MOST_TAKEN) {
            tell("it takes more than seven");
        }
        LineMap lines = getCurrentPath().getCompilationUnit().getLineMap();
        long from = trees.getSourcePositions().getStartPosition(getCurrentPath().getCompilationUnit(), tree);
        long to = trees.getSourcePositions().getEndPosition(getCurrentPath().getCompilationUnit(), tree);
        if (from >= 0 && to >= 0 && lines.getLineNumber(to) - lines.getLineNumber(from) > MOST_LINES) {
            tell("it is long");
        }
        super.visitMethod(tree, nothing);
        method = before;
        return null;
    }

    @Override
    public Void visitVariable(VariableTree tree, Void nothing) {
        Element variable = trees.getElement(getCurrentPath());
        if (!isAllowed(variable.asType())) {
            tell(tree.getName() + " has a type or dimensions that are not there: " + variable.asType());
        }
        Set<Modifier> of = tree.getModifiers().getFlags();
        if (variable.getKind() == ElementKind.FIELD && of.contains(Modifier.STATIC) && !of.contains(Modifier.FINAL)) {
            tell(tree.getName() + " is static, not final");
        }
        return super.visitVariable(tree, nothing);
    }

    @Override
    public Void visitMethodInvocation(MethodInvocationTree tree, Void nothing) {
        Element called = trees.getElement(new TreePath(getCurrentPath(), tree.getMethodSelect()));
        if (called == null || isOwn(called.getEnclosingElement())) {
            note(called);
        } else if (called.getKind() != ElementKind.CONSTRUCTOR && !LIBRARY.contains(nameOf(called))) {
            tell("it calls " + nameOf(called));
        }
        return super.visitMethodInvocation(tree, nothing);
    }

    @Override
    public Void visitNewClass(NewClassTree tree, Void nothing) {
        Element maker = trees.getElement(getCurrentPath());
        if (maker != null && isOwn(maker.getEnclosingElement()) && tree.getClassBody() == null) {
            note(maker);
        } else {
            tell("it makes a " + tree.getIdentifier());
        }
        return super.visitNewClass(tree, nothing);
    }

    @Override
    public Void visitTypeCast(TypeCastTree tree, Void nothing) {
        if (tree.getType().getKind() != Tree.Kind.PRIMITIVE_TYPE) {
            tell("it casts to " + tree.getType());
        }
        return super.visitTypeCast(tree, nothing);
    }

    @Override
    public Void visitBinary(BinaryTree tree, Void nothing) {
        TypeMirror made = trees.getTypeMirror(getCurrentPath());
        if (made != null && made.getKind() == TypeKind.DECLARED) {
            tell("it joins " + tree);
        }
        return super.visitBinary(tree, nothing);
    }

    private void note(Element called) {
        if (called != null && !method.isEmpty()) {
            calls.get(method).add(nameOf(called));
        }
    }

    private void tell(String what) {
        broken.add((method.isEmpty() ? "outside methods" : method) + ": " + what);
    }

    private static String nameOf(Element member) {
        return member.getEnclosingElement().getSimpleName() + "." + member.getSimpleName();
    }

    /** The source stands in no package, so that what it tells of itself has none either. */
    private static boolean isOwn(Element of) {
        Element outer = of;
        while (outer.getEnclosingElement() instanceof TypeElement around) {
            outer = around;
        }
        return outer instanceof TypeElement type
            && type.getQualifiedName().toString().equals(type.getSimpleName().toString());
    }

    private static boolean isAllowed(TypeMirror type) {
        if (type.getKind().isPrimitive()) {
            return true;
        }
        if (type instanceof ArrayType row) {
            TypeMirror of = row.getComponentType();
            boolean twice = of instanceof ArrayType inner && inner.getComponentType().getKind().isPrimitive();
            return twice || of.getKind() != TypeKind.ARRAY && isAllowed(of);
        }
        return type.toString().equals("java.lang.String")
            || type instanceof javax.lang.model.type.DeclaredType own && isOwn(own.asElement());
    }
}
